import java.math.BigInteger;

/** The random generator, worked out with whole numbers of any size. */
final class Draws {
    private static final BigInteger FACTOR = BigInteger.valueOf(1103515245);
    private static final BigInteger SUMMAND = BigInteger.valueOf(12345);
    private static final BigInteger MODULUS = BigInteger.valueOf(2147483648L);

    private Draws() {
    }

    static long next(long state) {
        return BigInteger.valueOf(state).multiply(FACTOR).add(SUMMAND).mod(MODULUS).longValueExact();
    }

    /** The state from which the generator comes to this one. */
    static int before(long state) {
        return BigInteger.valueOf(state).subtract(SUMMAND).multiply(FACTOR.modInverse(MODULUS)).mod(MODULUS)
                .intValueExact();
    }

    static int drawn(long state) {
        return (int) (state / 65536 % 100);
    }

    /** The least state from which a number is drawn. */
    static int seedFor(int number) {
        int seed = 0;
        while (drawn(next(seed)) != number) {
            seed++;
        }
        return seed;
    }

    /** One record of 24 frames, of which half are lost, 20 a minute. */
    static PassLink ready() {
        PassLink x = Scenes.steady(0, 5, 20);
        x.setLoss(0, 50);
        x.addRecord(24, 0);
        return x;
    }

    /** The frames that are received from a seed on, as a mask in binary digits. */
    static String seen(int seed, int frames) {
        PassLink x = Scenes.steady(0, 5, 20);
        x.setLoss(0, 50);
        x.addRecord(frames, 0);
        x.setSeed(seed);
        x.advance(2);
        return Integer.toBinaryString(x.frames(0, 3));
    }

    static String due(long seed, int frames) {
        int mask = 0;
        long state = seed;
        for (int frame = 0; frame < frames; frame++) {
            state = next(state);
            mask |= drawn(state) < 50 ? 0 : 1 << frame;
        }
        return Integer.toBinaryString(mask);
    }

    /** How many of one frame are lost by this loss, from this seed on: 0 or 1. */
    static int lost(int seed, int loss) {
        PassLink x = Scenes.steady(0, 5, 1);
        x.setLoss(0, loss);
        x.addRecord(1, 0);
        x.setSeed(seed);
        x.advance(1);
        return x.figure(1);
    }
}
