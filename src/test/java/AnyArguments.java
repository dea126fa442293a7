import java.lang.reflect.InvocationTargetException;
import java.lang.reflect.Method;
import java.util.ArrayList;
import java.util.Comparator;
import java.util.List;
import java.util.Random;

/** No call throws, for any arguments, on hills of every size; who lives where stays sound. */
public final class AnyArguments {
    private static final Check CHECK = new Check("AnyArguments");
    private static final int[] EDGES = {Integer.MIN_VALUE, Integer.MIN_VALUE + 1, -1000, -2, -1, 0, 1, 2, 3, 5, 6, 8, 9, 12,
        19, 20, 21, 23, 24, 25, 29, 30, 31, 39, 40, 41, 59, 60, 61, 99, 100, 239, 240, 241, 1200, 2000, 2001,
        Integer.MAX_VALUE - 1, Integer.MAX_VALUE};

    public static void main(String[] args) throws Exception {
        List<Method> calls = new ArrayList<>();
        for (Method m : AgeHill.class.getDeclaredMethods()) {
            if (java.lang.reflect.Modifier.isPublic(m.getModifiers())) {
                calls.add(m);
            }
        }
        calls.sort(Comparator.comparing(Method::getName));
        int runs = args.length > 0 ? Integer.parseInt(args[0]) : 400;
        for (int run = 0; run < runs; run++) {
            oneRun(calls, new Random(run));
        }
        CHECK.end();
    }

    private static void oneRun(List<Method> calls, Random random) throws Exception {
        AgeHill hill = new AgeHill();
        int houses = random.nextInt(25);
        int tops = random.nextInt(3);
        CHECK.due("read", CHECK.read(hill, text(random, houses, tops)), 0);
        for (int i = 0; i < random.nextInt(31); i++) {
            hill.come(random.nextInt(100), random.nextInt(100), random.nextBoolean());
            hill.live(i, houses == 0 ? 0 : random.nextInt(houses));
        }
        for (int i = 0; i < 350; i++) {
            Method call = calls.get(random.nextInt(calls.size()));
            // A text that is read would mostly empty the hill, which is told by RandomRuns.
            if (call.getName().equals("read") && random.nextInt(20) != 0) {
                continue;
            }
            Object[] with = new Object[call.getParameterCount()];
            for (int a = 0; a < with.length; a++) {
                with[a] = call.getParameterTypes()[a] == boolean.class ? (Object) random.nextBoolean() : (Object) number(random);
            }
            try {
                call.invoke(hill, with);
            } catch (InvocationTargetException thrown) {
                CHECK.due(call.getName() + java.util.Arrays.toString(with) + " threw " + thrown.getCause(), 1, 0);
            }
        }
        sound(hill);
    }

    private static int number(Random random) {
        return switch (random.nextInt(4)) {
            case 0 -> EDGES[random.nextInt(EDGES.length)];
            case 1 -> random.nextInt(40) - 2;
            default -> random.nextInt(12);
        };
    }

    private static String text(Random random, int houses, int tops) {
        StringBuilder text = new StringBuilder();
        for (int h = 0; h < houses; h++) {
            String side = tops == 0 ? "" : tops == 1 ? "left " : new String[] {"", "left ", "right "}[random.nextInt(3)];
            text.append("house ").append((char) ('a' + h)).append(' ').append(side).append(random.nextInt(100)).append(';');
        }
        text.append("cost=far*9/(to-3)+month;worth=(good-age)*9999*loved*9999;comes=age/7;dies=age/8;");
        text.append("step ").append(1 + random.nextInt(20)).append(";forgive if gap/(month-2)<3;");
        return text.toString();
    }

    /** Each house's family lives in that house, and the other way round. */
    private static void sound(AgeHill hill) {
        int live = 0;
        for (int h = 0; h < hill.count(0); h++) {
            int family = hill.house(h, 2);
            if (family != -2) {
                live++;
                CHECK.due("who lives in " + h, hill.family(family, 3), h);
            }
        }
        CHECK.due("that live", hill.count(3), live);
        int people = 0;
        for (int f = 0; f < hill.count(13); f++) {
            people += Math.max(0, hill.family(f, 0));
        }
        CHECK.due("people", hill.count(1), people);
        CHECK.due("in the row", hill.row(live), -1);
        CHECK.due("in the row", live == 0 || hill.row(live - 1) >= 0, true);
    }
}
