/**
 * Every sentence of promises 1 to 18 that names a boundary or a refused call, each with a test of
 * its own. A refused call must throw the very exception that is due and leave all as it was.
 */
public final class PlaceNetRefusalsTest {
    private static final Check check = new Check();
    private static final int LOW = Integer.MIN_VALUE;
    private static final int HIGH = Integer.MAX_VALUE;

    public static void main(String[] args) {
        make();
        delegate();
        site();
        prefix();
        move();
        register();
        send();
        rowCalls();
        fields();
        runAndPass();
        packet();
        note();
        truthAndCount();
        check.end();
    }

    private static void refused(PlaceNet x, String what, Class<? extends RuntimeException> due, Check.Call call) {
        String before = Picture.of(x);
        check.raises(what, due, call);
        check.same(what + ": nothing changed (1 so it is)", Picture.of(x).equals(before) ? 1 : 0, 1);
    }

    private static void bad(PlaceNet x, String what, Check.Call call) {
        refused(x, what, IllegalArgumentException.class, call);
    }

    private static void out(PlaceNet x, String what, Check.Call call) {
        refused(x, what, IndexOutOfBoundsException.class, call);
    }

    /**
     * Servers 0, 1 (0x10/4) and 2 (0x12/8); sites 0 and 1 at their numbers' places; site 1 has
     * 0x20/8 and is registered; site 0 has a note of it, a packet that came and one that waits,
     * whose REQUEST lies in the row.
     */
    private static PlaceNet busy() {
        PlaceNet x = new PlaceNet();
        x.delegate(0, 1, 0x10000000, 4);
        x.delegate(1, 2, 0x12000000, 8);
        x.site(0, 0);
        x.site(1, 1);
        x.prefix(1, 0x20000000, 8);
        x.register(1);
        x.send(0, 0x20000005);
        x.run(10);
        x.send(0, 0x40000000);
        return x;
    }

    private static void fill(PlaceNet x, int upTo) {
        while (x.count(0) < upTo) {
            x.repeat(0);
        }
    }

    private static void make() {
        check.sentence("P1 Server 0 alone, no sites, no messages.", () -> {
            PlaceNet x = new PlaceNet();
            for (int n = 1; n <= 7; n++) {
                int server = n;
                int other = n == 7 ? 1 : 7;
                bad(x, "server " + n + " isn't there", () -> x.delegate(server, other, 0, 1));
            }
            for (int n = 0; n <= 7; n++) {
                int s = n;
                bad(x, "site " + n + " isn't there", () -> x.note(s, 0, 0));
            }
            out(x, "no message", () -> x.message(0, 6));
            check.same("no packet", x.count(5), 0);
        });
        check.sentence("P1 a new object shares nothing with an older one", () -> {
            busy();
            PlaceNet x = new PlaceNet();
            check.same("as if alone", Picture.of(x).equals(Picture.of(new PlaceNet())) ? 1 : 0, 1);
            x.site(1, 1);
            x.send(1, 0x20000005);
            check.same("it draws from the beginning", x.message(0, 1), 270369);
        });
    }

    private static void delegate() {
        check.sentence("P2 A server that isn't there gets a part of one that is: either isn't so", () -> {
            PlaceNet x = busy();
            bad(x, "child 1 is there", () -> x.delegate(0, 1, 0x30000000, 4));
            bad(x, "child 0 is there", () -> x.delegate(1, 0, 0x11000000, 8));
            bad(x, "its own child", () -> x.delegate(0, 0, 0x30000000, 4));
            bad(x, "parent 3 isn't there", () -> x.delegate(3, 4, 0x30000000, 4));
            bad(x, "parent 3 isn't there, nor is it its own", () -> x.delegate(3, 3, 0x30000000, 4));
            for (int n : new int[] {-1, 8, LOW, HIGH}) {
                bad(x, "parent " + n, () -> x.delegate(n, 3, 0x30000000, 4));
                bad(x, "child " + n, () -> x.delegate(0, n, 0x30000000, 4));
            }
            check.fine("child 7", () -> x.delegate(0, 7, 0x30000000, 4));
            check.fine("parent 7", () -> x.delegate(7, 3, 0x30000000, 5));
            bad(x, "child 3 is there now", () -> x.delegate(0, 3, 0x50000000, 4));
        });
        check.sentence("P2 it is no prefix", () -> {
            PlaceNet x = busy();
            noPrefixes(x, (bits, length) -> x.delegate(0, 3, bits, length));
        });
        check.sentence("P2 not all its endpoints are the parent's own", () -> {
            PlaceNet x = busy();
            bad(x, "the child's part", () -> x.delegate(0, 3, 0x10000000, 4));
            bad(x, "half of it", () -> x.delegate(0, 3, 0x18000000, 5));
            bad(x, "one endpoint of it", () -> x.delegate(0, 3, 0x1FFFFFFF, 32));
            bad(x, "round it", () -> x.delegate(0, 3, 0, 3));
            bad(x, "the grandchild's part, of the root", () -> x.delegate(0, 3, 0x12000000, 8));
            bad(x, "beside the parent's part", () -> x.delegate(1, 3, 0x20000000, 8));
            bad(x, "one endpoint behind it", () -> x.delegate(1, 3, 0x20000000, 32));
            bad(x, "one endpoint before it", () -> x.delegate(1, 3, 0x0FFFFFFF, 32));
            bad(x, "round the parent's part", () -> x.delegate(2, 3, 0x10000000, 7));
            check.fine("its first endpoint", () -> x.delegate(1, 3, 0x10000000, 32));
            check.fine("its last endpoint", () -> x.delegate(1, 4, 0x1FFFFFFF, 32));
            bad(x, "that endpoint again", () -> x.delegate(1, 5, 0x1FFFFFFF, 32));
            bad(x, "round that endpoint", () -> x.delegate(1, 5, 0x1FFFFFFE, 31));
        });
        check.sentence("P2 or it is the parent's whole part", () -> {
            PlaceNet x = new PlaceNet();
            bad(x, "all endpoints", () -> x.delegate(0, 1, 0, 0));
            check.fine("half of them", () -> x.delegate(0, 1, LOW, 1));
            bad(x, "the whole half", () -> x.delegate(1, 2, LOW, 1));
            check.fine("one endpoint", () -> x.delegate(1, 2, -1, 32));
            bad(x, "the whole endpoint", () -> x.delegate(2, 3, -1, 32));
        });
    }

    private interface Taker {
        void take(int bits, int length);
    }

    private static void noPrefixes(PlaceNet x, Taker taker) {
        for (int length : new int[] {-1, 33, 64, LOW, HIGH}) {
            bad(x, "length " + length, () -> taker.take(0x30000000, length));
            bad(x, "length " + length + " of no bits", () -> taker.take(0, length));
        }
        for (int n = 0; n < 32; n++) {
            int length = n;
            bad(x, "the last bit with length " + n, () -> taker.take(1, length));
            bad(x, "the first bit behind length " + n, () -> taker.take(LOW >>> length, length));
        }
    }

    private static void site() {
        check.sentence("P3 it is already", () -> {
            PlaceNet x = busy();
            bad(x, "at its place", () -> x.site(0, 0));
            bad(x, "at another place", () -> x.site(0, 5));
        });
        check.sentence("P3 there is no such site or place", () -> {
            PlaceNet x = busy();
            for (int n : new int[] {-1, 8, LOW, HIGH}) {
                bad(x, "site " + n, () -> x.site(n, 5));
            }
            for (int n : new int[] {-1, 16, LOW, HIGH}) {
                bad(x, "place " + n, () -> x.site(5, n));
            }
            check.fine("site 7 at place 15", () -> x.site(7, 15));
            check.fine("the refused one after all", () -> x.site(5, 5));
        });
        check.sentence("P3 or another site is there", () -> {
            PlaceNet x = busy();
            bad(x, "place 0", () -> x.site(2, 0));
            bad(x, "place 1", () -> x.site(2, 1));
            x.move(0, 9);
            bad(x, "where one has moved", () -> x.site(2, 9));
            check.fine("where one has left", () -> x.site(2, 0));
        });
        check.sentence("P3 all eight sites", () -> {
            PlaceNet x = new PlaceNet();
            for (int n = 0; n < 8; n++) {
                int s = n;
                check.fine("site " + n, () -> x.site(s, 15 - s));
            }
            bad(x, "a ninth", () -> x.site(8, 0));
        });
    }

    private static void prefix() {
        check.sentence("P4 it isn't there", () -> {
            PlaceNet x = busy();
            for (int n : new int[] {-1, 2, 7, 8, LOW, HIGH}) {
                bad(x, "site " + n, () -> x.prefix(n, 0x30000000, 8));
            }
            check.same("the refused one is free", x.prefix(0, 0x30000000, 8), 0);
        });
        check.sentence("P4 has four", () -> {
            PlaceNet x = busy();
            for (int i = 0; i < 4; i++) {
                check.same("which one", x.prefix(0, 0x30000000 + (i << 24), 8), i);
            }
            bad(x, "a fifth", () -> x.prefix(0, 0x34000000, 8));
            check.same("four are registered", x.register(0), 4);
            check.same("the fifth is another's", x.prefix(1, 0x34000000, 8), 1);
        });
        check.sentence("P4 it is no prefix", () -> {
            PlaceNet x = busy();
            noPrefixes(x, (bits, length) -> x.prefix(0, bits, length));
            check.same("none was kept", x.register(0), 0);
        });
        check.sentence("P4 it has endpoints of more than one server's own", () -> {
            PlaceNet x = busy();
            bad(x, "of 0, 1 and 2", () -> x.prefix(0, 0, 0));
            bad(x, "of 0 and 1", () -> x.prefix(0, 0, 3));
            bad(x, "of 1 and 2, the whole part of 1", () -> x.prefix(0, 0x10000000, 4));
            bad(x, "of 1 and 2", () -> x.prefix(0, 0x12000000, 7));
            check.same("of 1 alone", x.prefix(0, 0x13000000, 8), 0);
            check.same("of 2 alone, its whole part", x.prefix(0, 0x12000000, 8), 1);
            check.same("of 0 alone", x.prefix(0, LOW, 1), 2);
        });
        check.sentence("P4 a part that is all its children's is nobody's own", () -> {
            PlaceNet x = new PlaceNet();
            x.site(0, 0);
            x.delegate(0, 1, 0, 1);
            x.delegate(0, 2, LOW, 1);
            bad(x, "both halves", () -> x.prefix(0, 0, 0));
            check.same("one half", x.prefix(0, LOW, 1), 0);
        });
        check.sentence("P4 or some site has the very same one", () -> {
            PlaceNet x = busy();
            bad(x, "itself", () -> x.prefix(1, 0x20000000, 8));
            bad(x, "another", () -> x.prefix(0, 0x20000000, 8));
            check.same("the same bits, longer", x.prefix(0, 0x20000000, 9), 0);
            check.same("the same bits, shorter", x.prefix(0, 0x20000000, 7), 1);
            bad(x, "site 0's, the second of its", () -> x.prefix(1, 0x20000000, 7));
            x.site(7, 7);
            x.prefix(7, 0x30000000, 8);
            bad(x, "site 7's", () -> x.prefix(0, 0x30000000, 8));
        });
    }

    private static void move() {
        check.sentence("P5 it isn't there", () -> {
            PlaceNet x = busy();
            for (int n : new int[] {-1, 2, 7, 8, LOW, HIGH}) {
                bad(x, "site " + n, () -> x.move(n, 5));
            }
            check.fine("the refused place is free", () -> x.site(2, 5));
        });
        check.sentence("P5 there is no such place", () -> {
            PlaceNet x = busy();
            for (int n : new int[] {-1, 16, LOW, HIGH}) {
                bad(x, "place " + n, () -> x.move(0, n));
            }
            bad(x, "it still is where it was", () -> x.site(2, 0));
            check.fine("place 15", () -> x.move(0, 15));
            check.fine("place 0", () -> x.move(0, 0));
        });
        check.sentence("P5 or a site is there (itself, too)", () -> {
            PlaceNet x = busy();
            bad(x, "another", () -> x.move(0, 1));
            bad(x, "itself", () -> x.move(0, 0));
            x.move(0, 9);
            bad(x, "itself after a move", () -> x.move(0, 9));
            check.fine("the place it left", () -> x.move(1, 0));
        });
        check.sentence("P5 a refused move is no leaving", () -> {
            PlaceNet x = busy();
            x.send(0, 0x20000006);
            bad(x, "itself", () -> x.move(1, 1));
            bad(x, "place 16", () -> x.move(1, 16));
            x.carry(1);
            check.same("the DATA found it there", x.packet(3, 0), 2);
        });
    }

    private static void register() {
        check.sentence("P6 it isn't there", () -> {
            PlaceNet x = busy();
            for (int n : new int[] {-1, 2, 7, 8, LOW, HIGH}) {
                bad(x, "site " + n, () -> x.register(n));
            }
        });
        check.sentence("P6 its nonces rise by 1, from 1 on: how many", () -> {
            PlaceNet x = new PlaceNet();
            x.site(0, 0);
            check.same("of no prefixes none", x.register(0), 0);
            x.prefix(0, 0, 8);
            x.prefix(0, 0x01000000, 8);
            check.same("two", x.register(0), 2);
            check.same("one more time", x.register(0), 2);
            for (int k = 0; k < 4; k++) {
                check.same("nonce", x.message(k, 4), k + 1);
                check.same("in order", x.message(k, 1), (k & 1) << 24);
            }
        });
        check.sentence("P6 Delegations made since may take a prefix: none goes then, and no nonce", () -> {
            PlaceNet x = new PlaceNet();
            x.site(0, 0);
            x.prefix(0, 0x20000000, 4);
            x.prefix(0, 0x30000000, 4);
            x.delegate(0, 1, 0x2F000000, 8);
            check.same("the second alone", x.register(0), 1);
            check.same("it", x.message(0, 1), 0x30000000);
            check.same("with the first nonce", x.message(0, 4), 1);
            x.delegate(0, 2, 0x3FFFFFFF, 32);
            check.same("one endpoint is enough to tear it", x.register(0), 0);
            check.same("none went", x.count(0), 1);
        });
        check.sentence("P6 to the server whose own they are: the whole may go to one child", () -> {
            PlaceNet x = new PlaceNet();
            x.site(0, 0);
            x.prefix(0, 0x20000000, 4);
            x.delegate(0, 1, 0x20000000, 3);
            x.register(0);
            check.same("to server 1", x.message(0, 7), 1);
            x.delegate(1, 2, 0x20000000, 4);
            x.register(0);
            check.same("then to server 2", x.message(1, 7), 2);
            check.same("the nonces go on", x.message(1, 4), 2);
        });
    }

    private static void send() {
        check.sentence("P7 IllegalArgumentException: it isn't there", () -> {
            PlaceNet x = busy();
            for (int n : new int[] {-1, 2, 7, 8, LOW, HIGH}) {
                bad(x, "site " + n, () -> x.send(n, 5));
            }
            check.same("no number was used", x.send(0, 0x50000000), 3);
            check.same("no nonce was drawn", x.message(1, 1), -1647531835);
        });
        check.sentence("P7 IllegalStateException: there are 200", () -> {
            PlaceNet x = new PlaceNet();
            x.site(0, 0);
            x.prefix(0, 0, 1);
            for (int i = 1; i <= 200; i++) {
                check.same("number", x.send(0, i), i);
            }
            refused(x, "the 201st", IllegalStateException.class, () -> x.send(0, 5));
            refused(x, "one that would ask", IllegalStateException.class, () -> x.send(0, -1));
            check.same("200 are there", x.count(5), 200);
        });
    }

    private static void rowCalls() {
        check.sentence("P8 IndexOutOfBoundsException: there is none such (also below): an empty row", () -> {
            PlaceNet x = new PlaceNet();
            noMessages(x, 0);
        });
        check.sentence("P8 there is none such (also below): one message", () -> {
            PlaceNet x = busy();
            noMessages(x, 1);
        });
        check.sentence("P8 there is none such (also below): a full row", () -> {
            PlaceNet x = busy();
            fill(x, 200);
            noMessages(x, 200);
            check.fine("forge of the last", () -> x.forge(199, 5, 9));
            check.same("the last", x.message(199, 5), 9);
            check.fine("drop of the last", () -> x.drop(199));
            check.fine("carry of the last", () -> x.carry(198));
            noMessages(x, 199);
        });
        check.sentence("P8 The k-th message, from 0 on, the oldest first, is carried and is there no more", () -> {
            PlaceNet x = busy();
            x.send(1, 0x50000000);
            x.send(1, 0x60000000);
            x.carry(2);
            check.same("the first stays", x.message(0, 2), 0x40000000);
            check.same("the second stays", x.message(1, 2), 0x50000000);
            check.same("its REPLY is the newest", x.message(2, 6), 2);
            check.same("three", x.count(0), 3);
            x.carry(0);
            check.same("then the first", x.message(0, 2), 0x50000000);
        });
        check.sentence("P9 The k-th message comes once more, as the newest one", () -> {
            PlaceNet x = busy();
            x.send(1, 0x50000000);
            x.forge(0, 5, 77);
            x.repeat(0);
            check.isMessage("the first is where it was", x, 0, 0, 67634689, 0x40000000, 0, 0, 77, 1, 0);
            check.isMessage("the newest", x, 2, 0, 67634689, 0x40000000, 0, 0, 77, 1, 0);
            check.same("the second", x.message(1, 2), 0x50000000);
            check.same("three", x.count(0), 3);
        });
        check.sentence("P10 The k-th message is lost", () -> {
            PlaceNet x = busy();
            x.send(1, 0x50000000);
            x.send(1, 0x60000000);
            x.drop(1);
            check.same("first", x.message(0, 2), 0x40000000);
            check.same("last", x.message(1, 2), 0x60000000);
            x.drop(1);
            x.drop(0);
            check.same("none", x.count(0), 0);
            check.same("none for want of room", x.count(4), 0);
            check.same("its packet waits", x.packet(2, 0), 0);
        });
    }

    private static void noMessages(PlaceNet x, int size) {
        for (int k : new int[] {-1, size, size + 1, 200, 201, LOW, HIGH}) {
            out(x, "carry " + k, () -> x.carry(k));
            out(x, "repeat " + k, () -> x.repeat(k));
            out(x, "drop " + k, () -> x.drop(k));
            out(x, "forge " + k, () -> x.forge(k, 0, 1));
            out(x, "message " + k, () -> x.message(k, 0));
            out(x, "forge " + k + ", no field either", () -> x.forge(k, 6, 1));
            out(x, "message " + k + ", no what either", () -> x.message(k, 8));
        }
    }

    private static void fields() {
        check.sentence("P11 Field i (0 .. 5) of the k-th message becomes v", () -> {
            PlaceNet x = busy();
            x.repeat(0);
            for (int v : new int[] {LOW, -1, 0, 1, HIGH}) {
                for (int i = 0; i <= 5; i++) {
                    x.forge(1, i, v);
                    check.same("field " + i, x.message(1, i), v);
                }
            }
            check.isMessage("the other", x, 0, 0, 67634689, 0x40000000, 0, 0, 0, 1, 0);
            check.same("its kind", x.message(1, 6), 1);
            check.same("to whom", x.message(1, 7), 0);
        });
        check.sentence("P11 also if there is no such field", () -> {
            PlaceNet x = busy();
            for (int i : new int[] {-1, 6, 7, 8, LOW, HIGH}) {
                out(x, "field " + i, () -> x.forge(0, i, 1));
            }
        });
        check.sentence("P12 what 0 .. 5: its fields; 6: its kind; 7: to whom it goes", () -> {
            PlaceNet x = new PlaceNet();
            x.delegate(0, 7, 0x70000000, 4);
            x.site(7, 15);
            x.prefix(7, 0x70000000, 8);
            x.register(7);
            check.isMessage("REGISTER", x, 0, 7, 0x70000000, 8, 15, 1,
                    Calls.tagOf(7, 0x70000000, 8, 15, 1), 0, 7);
        });
        check.sentence("P12 also another what", () -> {
            PlaceNet x = busy();
            for (int what : new int[] {-1, 8, 9, LOW, HIGH}) {
                out(x, "what " + what, () -> x.message(0, what));
            }
        });
    }

    private static void runAndPass() {
        check.sentence("P13 n isn't 0 .. 1000", () -> {
            PlaceNet x = busy();
            for (int n : new int[] {-1, 1001, LOW, HIGH}) {
                bad(x, "n " + n, () -> x.run(n));
            }
            String before = Picture.of(x);
            check.same("0", x.run(0), 0);
            check.same("carries nothing", Picture.of(x).equals(before) ? 1 : 0, 1);
            check.same("1000", x.run(1000), 2);
            check.same("1000 of none", x.run(1000), 0);
        });
        check.sentence("P13 n times (less, if there are none left): how many", () -> {
            PlaceNet x = busy();
            x.send(1, 0x50000000);
            check.same("two of two", x.run(2), 2);
            check.same("their REPLIES", x.count(0), 2);
            check.same("three of two", x.run(3), 2);
            check.same("one of none", x.run(1), 0);
        });
        check.sentence("P13 no more than 1000 though more would come", () -> {
            PlaceNet x = new PlaceNet();
            for (int n = 1; n <= 7; n++) {
                x.delegate(n - 1, n, 0, n);
            }
            x.site(0, 0);
            for (int i = 0; i < 100; i++) {
                x.send(0, 0);
            }
            check.same("a thousand", x.run(1000), 1000);
            check.same("five times referred so far", x.packet(1, 2), 5);
            check.same("the rest", x.run(1000), 600);
            check.same("seven times", x.packet(100, 2), 7);
        });
        check.sentence("P14 t isn't 1 .. 1000", () -> {
            PlaceNet x = busy();
            for (int t : new int[] {0, -1, 1001, LOW, HIGH}) {
                bad(x, "t " + t, () -> x.pass(t));
            }
            x.pass(1);
            check.same("1", x.count(6), 1);
            x.pass(1000);
            check.same("1000 more", x.count(6), 1001);
        });
        check.sentence("P14 or time would be above 1000000", () -> {
            // No object comes so far in its 512 calls; the sentence is held to beyond them too.
            PlaceNet x = new PlaceNet();
            for (int i = 0; i < 999; i++) {
                x.pass(1000);
            }
            x.pass(500);
            bad(x, "one above", () -> x.pass(501));
            check.fine("just so", () -> x.pass(500));
            bad(x, "above", () -> x.pass(1));
            check.same("time", x.count(6), 1000000);
        });
    }

    private static void packet() {
        check.sentence("P15 there is no such packet", () -> {
            PlaceNet x = busy();
            for (int p : new int[] {0, -1, 3, 200, 201, LOW, HIGH}) {
                bad(x, "packet " + p, () -> x.packet(p, 0));
                bad(x, "packet " + p + ", another what", () -> x.packet(p, 4));
            }
            PlaceNet y = new PlaceNet();
            bad(y, "packet 1 of none", () -> y.packet(1, 0));
        });
        check.sentence("P15 -1 for another what", () -> {
            PlaceNet x = busy();
            for (int what : new int[] {-1, 4, 5, LOW, HIGH}) {
                check.same("what " + what, x.packet(1, what), -1);
            }
        });
        check.sentence("P15 1: the site where it was delivered, -1 for none", () -> {
            PlaceNet x = busy();
            check.same("delivered", x.packet(1, 1), 1);
            check.same("waiting", x.packet(2, 1), -1);
            x.run(9);
            check.same("unreachable", x.packet(2, 0), 3);
            check.same("nowhere", x.packet(2, 1), -1);
            check.same("never", x.packet(2, 3), 0);
            x.prefix(0, 0x50000000, 8);
            check.same("at itself", x.packet(x.send(0, 0x50000000), 1), 0);
        });
    }

    private static void note() {
        check.sentence("P16 the site isn't there", () -> {
            PlaceNet x = busy();
            for (int n : new int[] {-1, 2, 7, 8, LOW, HIGH}) {
                bad(x, "site " + n, () -> x.note(n, 0x20000005, 0));
                bad(x, "site " + n + ", another what", () -> x.note(n, 0x20000005, 3));
            }
        });
        check.sentence("P16 -1 if there is none (or another what)", () -> {
            PlaceNet x = busy();
            for (int what = -1; what <= 3; what++) {
                check.same("just before it, what " + what, x.note(0, 0x1FFFFFFF, what), -1);
                check.same("just behind it, what " + what, x.note(0, 0x21000000, what), -1);
                check.same("another site's, what " + what, x.note(1, 0x20000005, what), -1);
            }
            for (int what : new int[] {-1, 3, LOW, HIGH}) {
                check.same("what " + what, x.note(0, 0x20000005, what), -1);
            }
            check.same("its first endpoint", x.note(0, 0x20000000, 0), 8);
            check.same("its last endpoint", x.note(0, 0x20FFFFFF, 0), 8);
        });
    }

    private static void truthAndCount() {
        check.sentence("P17 -1 if there is none", () -> {
            PlaceNet x = busy();
            check.same("first", x.truth(0x20000000), 1);
            check.same("last", x.truth(0x20FFFFFF), 1);
            check.same("before", x.truth(0x1FFFFFFF), -1);
            check.same("behind", x.truth(0x21000000), -1);
            for (int endpoint : new int[] {LOW, -1, 0, HIGH}) {
                check.same("endpoint " + endpoint, x.truth(endpoint), -1);
            }
        });
        check.sentence("P17 that hasn't lapsed", () -> {
            PlaceNet x = busy();
            x.pass(179);
            check.same("at 179", x.truth(0x20000000), 1);
            x.pass(1);
            check.same("at 180", x.truth(0x20000000), -1);
        });
        check.sentence("P17 (of several the lowest server's)", PlaceNetRefusalsTest::lowestServer);
        check.sentence("P18 -1 for another what", () -> {
            PlaceNet x = busy();
            for (int what : new int[] {-1, 9, 10, LOW, HIGH}) {
                check.same("what " + what, x.count(what), -1);
            }
        });
        check.sentence("P18 0 .. 8", () -> {
            PlaceNet x = busy();
            x.pass(7);
            int[] due = {1, 0, 0, 0, 0, 2, 7, 1, 1};
            for (int what = 0; what <= 8; what++) {
                check.same("what " + what, x.count(what), due[what]);
            }
        });
    }

    /** Site 1's entry stays in server 0 when server 3 gets the part; site 0's goes there. */
    private static void lowestServer() {
        PlaceNet x = busy();
        x.delegate(0, 3, 0x20000000, 8);
        x.prefix(0, 0x20000000, 9);
        x.register(0);
        Calls.forgeRegister(x, 1, 0, 0x20000000, 8, 0, 5);
        x.carry(1);
        check.same("two entries", x.count(7), 2);
        check.same("the lowest server's", x.truth(0x20000005), 1);
        x.register(0);
        x.carry(1);
        check.same("refused, an older nonce", x.count(1), 1);
        x.register(0);
        Calls.forgeRegister(x, 1, 0, 0x20000000, 9, 0, 6);
        x.carry(1);
        check.same("a longer one of a higher server", x.truth(0x20000005), 0);
        check.same("where it isn't", x.truth(0x20800000), 1);
    }
}
