/** Makes programs of SKIPs, and variables of which just some numbers, or just some signs, are possible. */
final class Maker {
    private Maker() {
    }

    /** A new object with a program of so many SKIPs (as many as it takes). */
    static FactFlow skips(int length) {
        FactFlow x = new FactFlow();
        for (int i = 0; i < length; i++) {
            x.add(12, 0, 0, 0);
        }
        return x;
    }

    /**
     * Adds instructions behind which variable v is one of up to three numbers, as inputs will have it.
     * Variable 3 is used up for that.
     */
    static void oneOf(FactFlow x, int v, int... numbers) {
        if (numbers.length == 1) {
            x.add(0, v, 0, numbers[0]);
            return;
        }
        x.add(6, 3, 0, 0);
        int end = x.length() + 2 * numbers.length - 1;
        for (int k = 0; k < numbers.length; k++) {
            x.add(0, v, 0, numbers[k]);
            if (k < numbers.length - 1) {
                x.add(k == 0 ? 7 : 8, 3, 0, end);
            }
        }
    }

    /** Numbers with just these signs, of which no last bit is known (but for ZERO alone). */
    static int[] withSigns(int signs) {
        switch (signs) {
            case 1:
                return new int[] {-1, -2};
            case 2:
                return new int[] {0};
            case 3:
                return new int[] {-1, 0};
            case 4:
                return new int[] {1, 2};
            case 5:
                return new int[] {-1, 2};
            case 6:
                return new int[] {0, 1};
            default:
                return new int[] {-1, 0, 1};
        }
    }

    /** Numbers with just these signs, of which the last 4 bits are known to be 0 (all for ZERO alone). */
    static int[] sixteens(int signs) {
        switch (signs) {
            case 1:
                return new int[] {-16, -32};
            case 2:
                return new int[] {0};
            case 3:
                return new int[] {-16, 0};
            case 4:
                return new int[] {16, 32};
            case 5:
                return new int[] {-16, 32};
            case 6:
                return new int[] {0, 16};
            default:
                return new int[] {-16, 0, 16};
        }
    }
}
