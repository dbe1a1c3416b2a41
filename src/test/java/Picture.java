/** All that can be seen of an object, as one text, so that two moments can be compared. */
final class Picture {
    private static final int[] ENDPOINTS = {
        0, 5, 0x10000000, 0x12000000, 0x12340000, 0x20000000, 0x20000005, 0x30000000, 0x40000000,
        Integer.MAX_VALUE, Integer.MIN_VALUE, -1};

    private Picture() {
    }

    static String of(PlaceNet x) {
        StringBuilder text = new StringBuilder();
        for (int what = 0; what <= 8; what++) {
            text.append(x.count(what)).append(' ');
        }
        for (int k = 0; k < x.count(0); k++) {
            for (int what = 0; what <= 7; what++) {
                text.append(x.message(k, what)).append(' ');
            }
        }
        for (int p = 1; p <= x.count(5); p++) {
            for (int what = 0; what <= 3; what++) {
                text.append(x.packet(p, what)).append(' ');
            }
        }
        for (int endpoint : ENDPOINTS) {
            text.append(x.truth(endpoint)).append(' ');
            for (int s = 0; s <= 7; s++) {
                addNotes(text, x, s, endpoint);
            }
        }
        return text.toString();
    }

    private static void addNotes(StringBuilder text, PlaceNet x, int s, int endpoint) {
        try {
            for (int what = 0; what <= 2; what++) {
                text.append(x.note(s, endpoint, what)).append(' ');
            }
        } catch (IllegalArgumentException e) {
            text.append("absent ");
        }
    }
}
