/** The calls of the face, told as text such as "add(0, 1, 10, 0)"; min and max are the ends of int. */
final class Calls {
    private Calls() {
    }

    static String tell(String name, int... arguments) {
        StringBuilder told = new StringBuilder(name).append('(');
        for (int i = 0; i < arguments.length; i++) {
            told.append(i == 0 ? "" : ", ").append(arguments[i]);
        }
        return told.append(')').toString();
    }

    static String nameOf(String call) {
        return call.substring(0, call.indexOf('('));
    }

    static int[] argumentsOf(String call) {
        String[] told = call.substring(call.indexOf('(') + 1, call.length() - 1).split(", ");
        int[] arguments = new int[told.length];
        for (int i = 0; i < told.length; i++) {
            arguments[i] = numberOf(told[i]);
        }
        return arguments;
    }

    private static int numberOf(String told) {
        if (told.equals("min")) {
            return Integer.MIN_VALUE;
        }
        return told.equals("max") ? Integer.MAX_VALUE : Integer.parseInt(told);
    }

    /** The answer as text: a number, or the name of the exception's class. */
    static String answer(QueryLoft loft, String call) {
        return answer(loft, nameOf(call), argumentsOf(call));
    }

    static String answer(QueryLoft loft, String name, int... arguments) {
        try {
            return "" + ask(loft, name, arguments);
        } catch (RuntimeException thrown) {
            return thrown.getClass().getName();
        }
    }

    static String answer(Model model, String name, int... arguments) {
        try {
            return "" + ask(model, name, arguments);
        } catch (RuntimeException thrown) {
            return thrown.getClass().getName();
        }
    }

    static boolean isRefusal(String answer) {
        return answer.startsWith("java");
    }

    private static long ask(QueryLoft loft, String name, int[] a) {
        switch (name) {
            case "table": return loft.table(a[0]);
            case "add": return loft.add(a[0], a[1], a[2], a[3]);
            case "take": return loft.take(a[0], a[1]);
            case "scan": return loft.scan(a[0]);
            case "filter": return loft.filter(a[0], a[1], a[2], a[3]);
            case "join": return loft.join(a[0], a[1], a[2], a[3], a[4]);
            case "group": return loft.group(a[0], a[1], a[2], a[3]);
            case "bag": return loft.bag(a[0], a[1], a[2]);
            case "rows": return loft.rows(a[0]);
            case "cell": return loft.cell(a[0], a[1], a[2]);
            case "same": return loft.same(a[0], a[1]) ? 1 : 0;
            case "steps": return loft.steps(a[0]);
            case "budget": return loft.budget(a[0]);
            case "rewrite": return loft.rewrite(a[0]);
            case "node": return loft.node(a[0], a[1]);
            case "link": return loft.link(a[0], a[1], a[2], a[3]);
            case "estimate": return loft.estimate(a[0]);
            case "cost": return loft.cost(a[0]);
            case "split": return loft.split(a[0]);
            case "view": return loft.view(a[0], a[1], a[2], a[3]);
            case "different": return loft.different(a[0]);
            case "often": return loft.often(a[0], a[1], a[2]);
            case "ways": return loft.ways(a[0]);
            default: throw new AssertionError("no such call: " + name);
        }
    }

    private static long ask(Model model, String name, int[] a) {
        switch (name) {
            case "table": return model.table(a[0]);
            case "add": return model.add(a[0], a[1], a[2], a[3]);
            case "take": return model.take(a[0], a[1]);
            case "scan": return model.scan(a[0]);
            case "filter": return model.filter(a[0], a[1], a[2], a[3]);
            case "join": return model.join(a[0], a[1], a[2], a[3], a[4]);
            case "group": return model.group(a[0], a[1], a[2], a[3]);
            case "bag": return model.bag(a[0], a[1], a[2]);
            case "rows": return model.rows(a[0]);
            case "cell": return model.cell(a[0], a[1], a[2]);
            case "same": return model.same(a[0], a[1]) ? 1 : 0;
            case "steps": return model.steps(a[0]);
            case "budget": return model.budget(a[0]);
            case "rewrite": return model.rewrite(a[0]);
            case "node": return model.node(a[0], a[1]);
            case "link": return model.link(a[0], a[1], a[2], a[3]);
            case "estimate": return model.estimate(a[0]);
            case "cost": return model.cost(a[0]);
            case "split": return model.split(a[0]);
            case "view": return model.view(a[0], a[1], a[2], a[3]);
            case "different": return model.different(a[0]);
            case "often": return model.often(a[0], a[1], a[2]);
            case "ways": return model.ways(a[0]);
            default: throw new AssertionError("no such call: " + name);
        }
    }
}
