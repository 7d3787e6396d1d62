import java.lang.reflect.InvocationTargetException;
import java.lang.reflect.Method;
import java.lang.reflect.Modifier;
import java.util.ArrayList;
import java.util.HashMap;
import java.util.List;
import java.util.Map;

/** A Henselhall that is called by texts, as "give(1, 3, 4)"; it counts its calls, of which there are 512 at most. */
final class House {
    static final int MOST_CALLS = 512;
    private static final Map<String, Method> FACE = new HashMap<>();

    static {
        for (Method one : Henselhall.class.getDeclaredMethods()) {
            if (Modifier.isPublic(one.getModifiers())) {
                FACE.put(one.getName(), one);
            }
        }
    }

    private final Henselhall inside = new Henselhall();
    private int left;

    House(int most) {
        left = most;
    }

    boolean isUsedUp() {
        return left <= 0;
    }

    /** The answer as a text; throws.X if an exception X was thrown; told(k) tells all that is known of a number. */
    String answer(String call) {
        int bracket = call.indexOf('(');
        if (bracket < 0 || !call.endsWith(")")) {
            throw new AssertionError("no call: " + call);
        }
        String name = call.substring(0, bracket);
        Object[] takes = numbersIn(call.substring(bracket + 1, call.length() - 1));
        return name.equals("told") ? told((Integer) takes[0]) : asked(name, takes);
    }

    private static Object[] numbersIn(String list) {
        List<Object> found = new ArrayList<>();
        for (String one : list.isBlank() ? new String[0] : list.split(",")) {
            String number = one.trim();
            found.add(number.equals("MIN") ? Integer.MIN_VALUE : number.equals("MAX") ? Integer.MAX_VALUE
                : Integer.parseInt(number));
        }
        return found.toArray();
    }

    private String asked(String name, Object... takes) {
        Method method = FACE.get(name);
        if (method == null) {
            throw new AssertionError("no method of the face: " + name);
        }
        if (left <= 0) {
            throw new AssertionError("more than 512 calls of one object");
        }
        left--;
        try {
            return String.valueOf(method.invoke(inside, takes));
        } catch (InvocationTargetException e) {
            return named(e.getCause());
        } catch (IllegalAccessException e) {
            throw new AssertionError(e);
        }
    }

    /** What the machine throws by itself bears other names, but for a division by 0. */
    private static String named(Throwable thrown) {
        boolean division = String.valueOf(thrown.getMessage()).contains("/ by zero");
        return division ? "a division by 0" : "throws." + thrown.getClass().getSimpleName();
    }

    private String told(int number) {
        String valuation = asked("valuation", number);
        String precision = asked("precision", number);
        if (valuation.startsWith("throws") || precision.startsWith("throws")) {
            return valuation.equals(precision) ? valuation : valuation + " and " + precision;
        }
        int low = Integer.parseInt(valuation);
        int high = Integer.parseInt(precision);
        StringBuilder text = new StringBuilder();
        for (int exponent = low; exponent < high; exponent++) {
            text.append(' ').append(asked("digit", number, exponent));
        }
        String beyond = asked("digit", number, high);
        if (!beyond.equals("throws.NoSuchElementException")) {
            text.append(" and beyond ").append(beyond);
        }
        return low == high && text.length() == 0 ? "nothing up to " + high : low + " up to " + high + ":" + text;
    }

    /** All that can be seen from outside, in calls that end where the house is used up; the house is spoilt by it. */
    String seen() {
        StringBuilder text = new StringBuilder();
        int numbers = seeNumbers(text);
        see(text, "nothingShare()");
        see(text, "meanDigits()");
        see(text, "isSound()");
        int polynomials = seePolynomials(text);
        seeUntilThrown(text, "difference(", 12);
        see(text, "rank()");
        see(text, "determinant()");
        seeUntilThrown(text, "shape(", 4);
        for (int k = 0; k < 16; k++) {
            see(text, "setEntry(" + k / 4 + ", " + k % 4 + ", 0)");
        }
        see(text, "setSize(1)");
        see(text, "value(0)");
        for (int k = 0; k < numbers; k++) {
            see(text, "refine(" + k + ", 1)");
        }
        for (int k = 0; k < polynomials; k++) {
            see(text, "term(" + k + ", 6, 1)");
        }
        see(text, "begin(1)");
        see(text, "setPrime(5)");
        see(text, "give(1, 1, 1)");
        return text.toString();
    }

    private int seeNumbers(StringBuilder text) {
        int digits = 0;
        for (int k = 0; k < 40; k++) {
            String low = see(text, "valuation(" + k + ")");
            String high = see(text, "precision(" + k + ")");
            if (low.startsWith("throws") || isUsedUp()) {
                return k;
            }
            for (int e = Integer.parseInt(low); e < Integer.parseInt(high) && digits < 120; e++) {
                see(text, "digit(" + k + ", " + e + ")");
                digits++;
            }
        }
        return 40;
    }

    private int seePolynomials(StringBuilder text) {
        for (int k = 0; k < 8; k++) {
            if (see(text, "sides(" + k + ")").startsWith("throws") || isUsedUp()) {
                return k;
            }
            seeUntilThrown(text, "length(" + k + ", ", 6);
            seeUntilThrown(text, "slope(" + k + ", ", 6);
            seeUntilThrown(text, "residue(" + k + ", ", 3);
            see(text, "rootsModulo(" + k + ", 1)");
            see(text, "rootsModulo(" + k + ", 2)");
        }
        return 8;
    }

    private void seeUntilThrown(StringBuilder text, String start, int most) {
        for (int k = 0; k < most; k++) {
            if (see(text, start + k + ")").startsWith("throws")) {
                return;
            }
        }
    }

    private String see(StringBuilder text, String call) {
        if (isUsedUp()) {
            return "throws.";
        }
        String answer = answer(call);
        text.append(call).append(" -> ").append(answer).append('\n');
        return answer;
    }
}
