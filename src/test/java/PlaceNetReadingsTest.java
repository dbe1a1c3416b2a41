/**
 * Seven points that can be read in more than one way: each test names the sentences that decide it,
 * and what follows from them where they meet.
 */
public final class PlaceNetReadingsTest {
    private static final Check check = new Check();
    private static final int LOW = Integer.MIN_VALUE;
    private static final int HIGH = Integer.MAX_VALUE;

    private static final int WAITS = 0;
    private static final int UNDER_WAY = 1;
    private static final int DELIVERED = 2;
    private static final int UNREACHABLE = 3;

    public static void main(String[] args) {
        holesNote();
        twoHundredPackets();
        wantOfRoom();
        carriedMessage();
        ninthReferral();
        firstNonces();
        dataThatGoesOn();
        check.end();
    }

    private static PlaceNet twoSites() {
        PlaceNet x = new PlaceNet();
        x.site(0, 0);
        x.site(1, 1);
        return x;
    }

    /** Site 1 has 0x20/8, registered; site 0's DATA to it, of packet 1, is the only message. */
    private static PlaceNet underWay() {
        PlaceNet x = twoSites();
        x.prefix(1, 0x20000000, 8);
        x.register(1);
        x.send(0, 0x20000005);
        x.run(3);
        return x;
    }

    private static void fill(PlaceNet x, int upTo) {
        while (x.count(0) < upTo) {
            x.repeat(0);
        }
    }

    /**
     * "(-1 for a HOLE)" stands at the place alone, so what 2 is "its version" for a HOLE too: the
     * one in the REPLY, 0 from a server, another only by forge().
     */
    private static void holesNote() {
        check.sentence("1. a HOLE's note, as a server sends it", () -> {
            PlaceNet x = twoSites();
            x.send(0, 5);
            x.run(2);
            check.same("unreachable", x.packet(1, 0), UNREACHABLE);
            isNote(x, 5, 0, -1, 0);
            check.same("another what", x.note(0, 5, 3), -1);
        });
        check.sentence("1. a HOLE's note, its REPLY forged", () -> {
            for (int version : new int[] {7, -1, LOW, HIGH}) {
                PlaceNet x = twoSites();
                x.send(0, 5);
                x.run(1);
                x.forge(0, 4, 9);
                x.forge(0, 5, version);
                x.run(1);
                check.same("unreachable, whatever the value", x.packet(1, 0), UNREACHABLE);
                check.same("no DATA", x.count(0), 0);
                isNote(x, 5, 0, -1, version);
            }
        });
        check.sentence("1. -1 if there is none: before, and when it has gone", () -> {
            PlaceNet x = twoSites();
            isNote(x, 5, -1, -1, -1);
            x.send(0, 5);
            x.run(2);
            x.pass(60);
            isNote(x, 5, -1, -1, -1);
        });
        check.sentence("1. a MAPPING's note keeps what its REPLY says", () -> {
            PlaceNet x = twoSites();
            x.send(0, 5);
            x.run(1);
            x.forge(0, 1, 1);
            x.forge(0, 4, 15);
            x.forge(0, 5, -9);
            x.run(1);
            isNote(x, 5, 0, 15, -9);
        });
    }

    private static void isNote(PlaceNet x, int endpoint, int length, int place, int version) {
        check.same("length", x.note(0, endpoint, 0), length);
        check.same("place", x.note(0, endpoint, 1), place);
        check.same("version", x.note(0, endpoint, 2), version);
    }

    /** The document names the exceptions in this order, here and in the face. */
    private static void twoHundredPackets() {
        check.sentence("2. send() when there are 200 packets", () -> {
            PlaceNet x = twoSites();
            x.prefix(0, 0, 0);
            for (int i = 0; i < 199; i++) {
                x.send(0, 5);
            }
            check.bad("199, and it isn't there", () -> x.send(2, 5));
            check.same("the 200th", x.send(0, 5), 200);
            check.raises("200, and it is there", IllegalStateException.class, () -> x.send(0, 5));
            for (int s : new int[] {2, 7, 8, -1, LOW, HIGH}) {
                check.raises("200, and site " + s + " isn't there", IllegalStateException.class, () -> x.send(s, 5));
            }
            check.same("packets", x.count(5), 200);
        });
    }

    /** A message must be sent to be lost for want of room, so it counts wherever sending does. */
    private static void wantOfRoom() {
        check.sentence("3. a REGISTER that is lost was sent, its nonce is used", () -> {
            PlaceNet x = underWay();
            x.prefix(1, 0x30000000, 8);
            fill(x, 199);
            check.same("one has room, one is lost: two", x.register(1), 2);
            check.same("lost", x.count(4), 1);
            check.same("the first prefix's lies there", x.message(199, 4), 2);
            check.same("both are lost: two", x.register(1), 2);
            check.same("lost in all", x.count(4), 3);
            x.drop(0);
            x.register(1);
            check.same("the nonces rose", x.message(199, 4), 6);
        });
        check.sentence("3. a REQUEST that is lost was sent: its packet WAITS, its nonce is drawn", () -> {
            PlaceNet x = underWay();
            fill(x, 200);
            check.same("a number", x.send(0, 0x40000000), 2);
            check.same("waits", x.packet(2, 0), WAITS);
            check.same("lost", x.count(4), 1);
            x.drop(0);
            x.send(0, 0x40000001);
            check.same("the third nonce", x.message(199, 1), -1647531835);
        });
        check.sentence("3. DATA that is lost for want of room leaves its packet under way", () -> {
            PlaceNet x = underWay();
            fill(x, 200);
            check.same("under way", x.packet(x.send(0, 0x20000006), 0), UNDER_WAY);
            check.same("lost", x.count(4), 1);
        });
        check.sentence("3. a SOLICIT that is lost was sent", () -> {
            PlaceNet x = underWay();
            fill(x, 200);
            x.move(1, 9);
            x.carry(0);
            check.same("the DATA had the room", x.message(199, 7), 9);
            check.same("SOLICITS sent", x.count(3), 1);
            check.same("messages lost", x.count(4), 1);
            check.same("messages there", x.count(0), 200);
        });
        check.sentence("3. a SOLICIT that comes once more isn't sent once more", () -> {
            PlaceNet x = underWay();
            x.forge(0, 2, 0x30000000);
            x.run(1);
            x.repeat(0);
            check.same("SOLICITS sent", x.count(3), 1);
            check.same("messages there", x.count(0), 2);
        });
    }

    /** A message that is carried "is there no more": what comes of it finds its room free. */
    private static void carriedMessage() {
        check.sentence("4. carry of a full row's REQUEST: the REPLY has its room", () -> {
            for (int k : new int[] {0, 77, 199}) {
                PlaceNet x = twoSites();
                x.send(0, 5);
                fill(x, 200);
                x.carry(k);
                check.same("200", x.count(0), 200);
                check.same("none lost", x.count(4), 0);
                check.same("the newest", x.message(199, 6), 2);
                check.same("the one before it", x.message(198, 6), 1);
            }
        });
        check.sentence("4. run on a full row: the same", () -> {
            PlaceNet x = twoSites();
            x.send(0, 5);
            fill(x, 200);
            check.same("all are carried", x.run(200), 200);
            check.same("200 REPLIES", x.count(0), 200);
            check.same("none lost", x.count(4), 0);
            check.same("all are carried, the first answers", x.run(1000), 200);
            check.same("199 were ignored", x.count(2), 199);
            check.same("no message", x.count(0), 0);
        });
        check.sentence("4. carry of a full row's REPLY: the DATA has its room", () -> {
            PlaceNet x = twoSites();
            x.send(0, 5);
            x.run(1);
            x.forge(0, 1, 1);
            fill(x, 200);
            x.carry(0);
            check.same("DATA", x.message(199, 6), 3);
            check.same("none lost", x.count(4), 0);
        });
        check.sentence("4. a message that brings nothing about just leaves", () -> {
            PlaceNet x = underWay();
            fill(x, 200);
            x.carry(199);
            check.same("delivered", x.packet(1, 0), DELIVERED);
            check.same("199", x.count(0), 199);
        });
    }

    /** The ninth is a REFERRAL as the eight before it: it is counted, and no nonce is drawn. */
    private static void ninthReferral() {
        check.sentence("5. the ninth REFERRAL", () -> {
            PlaceNet x = twoSites();
            x.delegate(0, 1, 0x40000000, 2);
            x.send(0, 0x40000000);
            int g = Calls.nextDraw(1);
            for (int i = 1; i <= 8; i++) {
                x.run(1);
                x.forge(0, 4, 0);
                x.run(1);
                g = Calls.nextDraw(g);
                check.same("REFERRALS", x.packet(1, 2), i);
                check.same("waits", x.packet(1, 0), WAITS);
                check.same("a new nonce", x.message(0, 1), g);
            }
            x.run(1);
            x.repeat(0);
            x.run(1);
            check.same("unreachable", x.packet(1, 0), UNREACHABLE);
            check.same("nine REFERRALS", x.packet(1, 2), 9);
            check.same("no REQUEST, the repeated one alone", x.count(0), 1);
            check.same("not ignored", x.count(2), 0);
            x.run(1);
            check.same("a tenth is ignored: it waits no more", x.count(2), 1);
            check.same("nine still", x.packet(1, 2), 9);
            check.same("no note", x.count(8), 0);
            x.send(0, 0);
            check.same("no nonce was drawn", x.message(0, 1), Calls.nextDraw(g));
        });
    }

    /** Where a server has taken none of a site's, every nonce is above all of them. */
    private static void firstNonces() {
        check.sentence("6. none was taken: any nonce", () -> {
            for (int nonce : new int[] {LOW, -1, 0, 1, HIGH}) {
                PlaceNet x = underWay();
                isTaken(x, "first nonce " + nonce, 1, 0, nonce);
                isTaken(x, "the same again", 0, 0, nonce);
                isTaken(x, "one below", 0, 0, nonce == LOW ? LOW : nonce - 1);
                isTaken(x, "one above", nonce == HIGH ? 0 : 1, 0, nonce == HIGH ? HIGH : nonce + 1);
                check.same("the version", versionOf(x), nonce == HIGH ? HIGH : nonce + 1);
            }
        });
        check.sentence("6. above all those that it has taken, not the last entry's alone", () -> {
            PlaceNet x = underWay();
            isTaken(x, "5", 1, 0, 5);
            x.pass(180);
            isTaken(x, "5, its entry has lapsed", 0, 0, 5);
            isTaken(x, "4", 0, 0, 4);
            isTaken(x, "6", 1, 0, 6);
        });
        check.sentence("6. a refused REGISTER's nonce isn't taken", () -> {
            PlaceNet x = underWay();
            x.register(1);
            Calls.forgeRegister(x, 1, 0, 0x30000000, 8, 16, 100);
            x.carry(1);
            check.same("place 16", x.count(1), 1);
            isTaken(x, "a lower one", 1, 0, 5);
        });
        check.sentence("6. that site's: another site's are others", () -> {
            PlaceNet x = underWay();
            isTaken(x, "site 0", 1, 0, 50);
            x.register(1);
            x.carry(1);
            check.same("site 1's second", x.count(1), 0);
        });
        check.sentence("6. that it has taken: another server's are others", () -> {
            PlaceNet x = underWay();
            isTaken(x, "site 0 at server 0", 1, 0, 50);
            x.delegate(0, 1, 0x50000000, 8);
            x.prefix(0, 0x50000000, 8);
            x.register(0);
            x.carry(1);
            check.same("site 0's first, at server 1", x.count(1), 0);
            check.same("three entries", x.count(7), 3);
        });
    }

    private static void isTaken(PlaceNet x, String what, int due, int s, int nonce) {
        int before = x.count(1);
        x.register(1);
        int k = x.count(0) - 1;
        Calls.forgeRegister(x, k, s, 0x30000000, 8, 0, nonce);
        x.carry(k);
        check.same(what + " (1 taken, 0 refused)", before + 1 - x.count(1), due);
    }

    private static int versionOf(PlaceNet x) {
        x.send(1, 0x30000000);
        int k = x.count(0) - 1;
        x.carry(k);
        int version = x.message(k, 5);
        x.drop(k);
        return version;
    }

    /**
     * It is a message of its own in the row: DATA, whose last three fields are 0. Its site, packet
     * and endpoint are those of the DATA that came, as forged.
     */
    private static void dataThatGoesOn() {
        check.sentence("7. fields 3 to 5 are 0, though they were forged", () -> {
            PlaceNet x = underWay();
            for (int i = 3; i <= 5; i++) {
                x.forge(0, i, i + 100);
            }
            x.move(1, 9);
            x.run(1);
            check.isMessage("DATA first", x, 0, 0, 1, 0x20000005, 0, 0, 0, 3, 9);
            check.isMessage("then SOLICIT", x, 1, 0x20000005, 1, 0, 0, 0, 0, 4, 0);
        });
        check.sentence("7. site, packet and endpoint are as forged, and so is the SOLICIT", () -> {
            PlaceNet x = underWay();
            x.site(2, 2);
            x.send(0, 0x20000006);
            x.forge(0, 0, 2);
            x.forge(0, 1, 2);
            x.forge(0, 2, 0x20000007);
            x.move(1, 9);
            x.carry(0);
            check.isMessage("DATA", x, 1, 2, 2, 0x20000007, 0, 0, 0, 3, 9);
            check.isMessage("SOLICIT", x, 2, 0x20000007, 1, 0, 0, 0, 0, 4, 2);
            x.carry(1);
            check.same("the packet that it names came", x.packet(2, 0), DELIVERED);
            check.same("the other is under way", x.packet(1, 0), UNDER_WAY);
        });
        check.sentence("7. a packet that isn't under way goes on too, and stays what it was", () -> {
            PlaceNet x = underWay();
            x.send(0, 0x40000000);
            x.forge(0, 1, 2);
            x.move(1, 9);
            x.carry(0);
            check.same("it waits", x.packet(2, 0), WAITS);
            check.isMessage("DATA", x, 1, 0, 2, 0x20000005, 0, 0, 0, 3, 9);
            x.carry(1);
            check.same("delivered, whatever it was", x.packet(2, 0), DELIVERED);
        });
    }
}
