import java.lang.reflect.Method;
import java.util.Random;

/** The bits and the remainder that LoadBook works out by itself, held against Java's own. */
public final class RealTest {
    private static int wrong = 0;
    private static int checks = 0;

    public static void main(String[] args) throws Exception {
        Class<?> real = Class.forName("LoadBook$Real");
        Method bitsOf = real.getDeclaredMethod("bitsOf", double.class);
        Method remainder = real.getDeclaredMethod("remainder", double.class, double.class);
        bitsOf.setAccessible(true);
        remainder.setAccessible(true);
        Random random = new Random(7);
        double[] edges = {0.0, -0.0, 1, -1, 0.1, 3, 1e300, Double.MAX_VALUE, Double.MIN_VALUE, Double.MIN_NORMAL,
            Math.nextDown(Double.MIN_NORMAL), Math.nextDown(1.0), Math.nextUp(1.0), Math.nextDown(2.0), 4503599627370496.0,
            18446744073709551616.0, 1 / 18446744073709551616.0, Math.nextDown(18446744073709551616.0)};
        for (double a : edges) {
            checkBits(bitsOf, a);
            checkBits(bitsOf, -a);
            for (double b : edges) {
                checkRemainder(remainder, a, b);
                checkRemainder(remainder, -a, b);
                checkRemainder(remainder, a, -b);
            }
        }
        for (int e = -1074; e <= 1023; e++) {
            double power = Math.scalb(1.0, e);
            checkBits(bitsOf, power);
            checkBits(bitsOf, Math.nextUp(power));
            checkBits(bitsOf, -Math.nextDown(power));
            checkRemainder(remainder, Math.nextUp(power), 3.0);
            checkRemainder(remainder, Math.nextDown(power), Double.MIN_VALUE * 3);
        }
        for (int i = 0; i < 100000; i++) {
            double a = any(random);
            double b = any(random);
            checkBits(bitsOf, a);
            checkRemainder(remainder, a, b);
            checkRemainder(remainder, a, a / (1 + random.nextInt(50)));
        }
        System.out.println("RealTest: " + checks + " checks, " + wrong + " wrong");
        if (wrong > 0) {
            System.exit(1);
        }
    }

    private static double any(Random random) {
        double x;
        do {
            x = Double.longBitsToDouble(random.nextLong() & (random.nextInt(8) == 0 ? 0x801fffffffffffffL : -1L));
        } while (Double.isNaN(x) || Double.isInfinite(x));
        return x;
    }

    private static void note(String what, double got, double want) {
        checks++;
        if (Double.doubleToRawLongBits(got) != Double.doubleToRawLongBits(want)) {
            wrong++;
            if (wrong < 20) {
                System.out.println(what + " gave " + got + ", due is " + want);
            }
        }
    }

    private static void checkBits(Method bitsOf, double x) throws Exception {
        note("bits of " + x, Double.longBitsToDouble((Long) bitsOf.invoke(null, x)), x);
    }

    private static void checkRemainder(Method remainder, double x, double y) throws Exception {
        if (y != 0 && !Double.isNaN(y)) {
            note(x + " % " + y, (Double) remainder.invoke(null, x, y), x % y);
        }
    }
}
