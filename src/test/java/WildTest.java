import java.lang.reflect.InvocationTargetException;
import java.lang.reflect.Method;
import java.util.ArrayList;
import java.util.Comparator;
import java.util.List;
import java.util.Random;

/** Any arguments in any state: no call may throw. */
public final class WildTest {
    private static final int[] ODD = {
        0, 1, 2, 3, 7, 8, 9, 10, 12, 15, 16, 19, 20, 30, 60, 99, 100, 101, 120, 121, 239, 240, 241, 260, 3060, 65535,
        999999, -1, -2, Integer.MIN_VALUE, Integer.MAX_VALUE, Integer.MIN_VALUE + 1, Integer.MIN_VALUE + 100
    };
    private static final String SIGNS = "rwlvxseaofthkdn0123456789()[]!&|<>=+-*/%;F?^_ABCZ";

    private WildTest() {
    }

    public static void main(String[] args) throws IllegalAccessException {
        List<Method> face = new ArrayList<>();
        for (Method m : DeadLines.class.getDeclaredMethods()) {
            if (java.lang.reflect.Modifier.isPublic(m.getModifiers())) {
                face.add(m);
            }
        }
        face.sort(Comparator.comparing(Method::getName));
        for (int run = 0; run < 400; run++) {
            go(run, face);
        }
        Due.end();
    }

    private static void go(int run, List<Method> face) throws IllegalAccessException {
        Random draw = new Random(run);
        DeadLines x = new DeadLines();
        for (int s = 0; s < 16 && run % 2 == 0; s++) {
            x.subscriber(s, draw.nextInt(8), draw.nextBoolean());
            x.trunk(s % 8, draw.nextInt(8), draw.nextInt(10));
        }
        if (run % 4 == 0) {
            Due.law(x, "r10(1=1);ws+1(s<15);l1+s(1=1);v(s/[s-3]=1)");
        }
        for (int i = 0; i < 400; i++) {
            Method m = face.get(draw.nextInt(face.size()));
            Object[] args = new Object[m.getParameterCount()];
            for (int j = 0; j < args.length; j++) {
                boolean isInt = m.getParameterTypes()[j] == int.class;
                args[j] = isInt ? (Object) number(draw, m.getName().equals("feed")) : (Object) draw.nextBoolean();
            }
            try {
                m.invoke(x, args);
                Due.is("call", 0, 0);
            } catch (InvocationTargetException e) {
                Due.is("run " + run + ": " + m.getName() + java.util.Arrays.toString(args) + " threw "
                    + e.getCause(), 1, 0);
            }
        }
    }

    private static int number(Random draw, boolean asText) {
        if (asText && draw.nextInt(4) != 0) {
            int four = 0;
            for (int i = 0; i < 4; i++) {
                four = four << 8 | SIGNS.charAt(draw.nextInt(SIGNS.length()));
            }
            return four;
        }
        int kind = draw.nextInt(6);
        return kind == 0 ? draw.nextInt() : kind < 3 ? ODD[draw.nextInt(ODD.length)] : draw.nextInt(17);
    }
}
