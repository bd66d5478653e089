import java.util.ArrayList;
import java.util.Arrays;
import java.util.List;
import java.util.regex.Matcher;
import java.util.regex.Pattern;

/** The model's reader: all tokens first, an exception for the first error, a query read anew for every packet. */
final class ModelReader {
    static final class Fault extends Exception {
        private static final long serialVersionUID = 1L;
        final int code;
        final int position;

        Fault(int code, int position) {
            this.code = code;
            this.position = position;
        }
    }

    static final class Token {
        final String text;
        final int position;

        Token(String text, int position) {
            this.text = text;
            this.position = position;
        }
    }

    private static final Pattern TOKEN = Pattern.compile("[a-z]+|[0-9]+|[^ \n]", Pattern.DOTALL);
    private static final List<String> PROPERTIES = Arrays.asList("flow", "size", "arrival", "state", "tries", "?",
            "source", "target", "port");

    final List<Token> tokens = new ArrayList<>();
    private final Model.State state;
    private int at = 0;
    private int open = 0;

    ModelReader(String text, Model.State state) {
        Matcher matcher = TOKEN.matcher(text);
        while (matcher.find()) {
            tokens.add(new Token(matcher.group(), matcher.start()));
        }
        tokens.add(new Token("", text.length()));
        this.state = state;
    }

    private String now() {
        return tokens.get(at).text;
    }

    private void require(boolean fine, int code) throws Fault {
        if (!fine) {
            throw new Fault(code, tokens.get(at).position);
        }
    }

    private void word(String word) throws Fault {
        require(now().equals(word), 1);
        at++;
    }

    private int number(int least, int most) throws Fault {
        require(now().matches("[0-9]+"), 1);
        java.math.BigInteger value = new java.math.BigInteger(now());
        require(value.compareTo(java.math.BigInteger.valueOf(least)) >= 0
                && value.compareTo(java.math.BigInteger.valueOf(most)) <= 0, 2);
        at++;
        return value.intValue();
    }

    Model.State text() throws Fault {
        Model.State made = new Model.State();
        while (!now().isEmpty()) {
            switch (now()) {
                case "flow":
                    require(made.flows.size() < 6, 3);
                    at++;
                    flow(made);
                    break;
                case "rule":
                    require(made.rules.size() < 12, 3);
                    at++;
                    rule(made);
                    break;
                case "link":
                    at++;
                    made.rate = number(1, 9000);
                    break;
                case "delay":
                    at++;
                    made.delay = number(1, 50);
                    break;
                case "timeout":
                    at++;
                    made.timeout = number(1, 200);
                    break;
                default:
                    require(false, 1);
            }
            word(";");
        }
        return made;
    }

    private void flow(Model.State made) throws Fault {
        Model.Flow flow = new Model.Flow();
        flow.weight = number(1, 16);
        flow.limit = number(1, 60000);
        while (!now().equals(";")) {
            require(Arrays.asList("burst", "retries", "loss", "late").contains(now()), 1);
            String option = now();
            at++;
            if (option.equals("burst")) {
                flow.burst = number(0, 20000);
            } else if (option.equals("retries")) {
                flow.retries = number(0, 9);
            } else if (option.equals("loss")) {
                flow.loss = number(2, 99);
            } else {
                flow.late = number(2, 99);
                flow.lateTime = number(1, 200);
            }
        }
        made.flows.add(flow);
    }

    private void rule(Model.State made) throws Fault {
        Model.Rule rule = new Model.Rule();
        while (!now().equals("to")) {
            int which = Arrays.asList("source", "target", "port").indexOf(now());
            require(which >= 0, 1);
            at++;
            rule.least[which] = number(0, 255);
            rule.greatest[which] = number(rule.least[which], 255);
        }
        at++;
        rule.flow = number(0, made.flows.size() - 1);
        made.rules.add(rule);
    }

    /** For packet -1 only the errors matter. */
    boolean query(int packet) throws Fault {
        require(now().equals("many") || now().equals("first"), 1);
        at++;
        boolean holds = test(packet);
        require(now().isEmpty(), 1);
        return holds;
    }

    private boolean test(int packet) throws Fault {
        boolean holds = conjunction(packet);
        while (now().equals("or")) {
            at++;
            holds = conjunction(packet) || holds;
        }
        return holds;
    }

    private boolean conjunction(int packet) throws Fault {
        boolean holds = factor(packet);
        while (now().equals("and")) {
            at++;
            holds = factor(packet) && holds;
        }
        return holds;
    }

    private boolean factor(int packet) throws Fault {
        boolean holds;
        if (now().equals("not") || now().equals("(")) {
            require(open < 6, 3);
            open++;
            at++;
            if (tokens.get(at - 1).text.equals("not")) {
                holds = !factor(packet);
            } else {
                holds = test(packet);
                word(")");
            }
            open--;
            return holds;
        }
        int left = value(packet);
        String sign = now();
        require(sign.equals("<") || sign.equals("=") || sign.equals(">"), 1);
        at++;
        int right = value(packet);
        return sign.equals("<") ? left < right : sign.equals("=") ? left == right : left > right;
    }

    private int value(int packet) throws Fault {
        if (now().equals("packet")) {
            at++;
            return packet;
        }
        int which = PROPERTIES.indexOf(now());
        if (which >= 0 && !now().equals("?")) {
            at++;
            return packet < 0 ? 0 : Model.property(state, packet, which);
        }
        return number(0, 999999);
    }
}
