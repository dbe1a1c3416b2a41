/** What several tests work out for themselves. */
final class Calls {
    private Calls() {
    }

    static int nextDraw(int g) {
        g = g ^ (g << 13);
        g = g ^ (g >>> 17);
        return g ^ (g << 5);
    }

    static int tagOf(int site, int bits, int length, int place, int nonce) {
        int h = (site + 1) * 40503;
        for (int v : new int[] {site, bits, length, place, nonce}) {
            h = (h ^ v) * 16777619;
            h = h ^ (h >>> 15);
        }
        return h;
    }

    /** Makes the k-th message, a REGISTER, say this, with the right tag. */
    static void forgeRegister(PlaceNet x, int k, int... said) {
        for (int i = 0; i < 5; i++) {
            x.forge(k, i, said[i]);
        }
        x.forge(k, 5, tagOf(said[0], said[1], said[2], said[3], said[4]));
    }
}
