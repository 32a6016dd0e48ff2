import java.util.function.IntSupplier;

/** Depots that tests begin with, and what many of them do with one. */
final class Depots {
    private Depots() {
    }

    /** What a call answers: a number, or the name of what it throws. */
    static String answer(IntSupplier call) {
        try {
            return String.valueOf(call.getAsInt());
        } catch (RuntimeException e) {
            return e.getClass().getSimpleName();
        }
    }

    /** Feeds a text without looking at what feed answers. */
    static ParcelDepot feed(ParcelDepot depot, String text) {
        for (int index = 0; index < text.length(); index++) {
            depot.feed(text.charAt(index));
        }
        return depot;
    }

    static int run(ParcelDepot depot, String text) {
        return feed(depot, text).runCommands();
    }

    static String written(ParcelDepot depot, int sack) {
        int length = depot.writeSack(sack);
        StringBuilder text = new StringBuilder();
        for (int index = 0; index < length; index++) {
            text.append(depot.outputChar(index));
        }
        return text.toString();
    }

    /** A depot with gloves of these grades. */
    static ParcelDepot withGloves(int... grades) {
        ParcelDepot depot = new ParcelDepot();
        for (int grade : grades) {
            depot.buyGlove(grade);
        }
        return depot;
    }

    /** Adds harmless parcels of these weights, bound for place 5. */
    static ParcelDepot addWeights(ParcelDepot depot, int... weights) {
        for (int weight : weights) {
            depot.acceptParcel(weight, 0, 5);
        }
        return depot;
    }

    /** Adds parcels of weight 1 and these hazards, bound for place 5. */
    static ParcelDepot addHazards(ParcelDepot depot, int... hazards) {
        for (int hazard : hazards) {
            depot.acceptParcel(1, hazard, 5);
        }
        return depot;
    }

    /** All that can be seen of the part of a depot that is undone and saved. */
    static String seen(ParcelDepot depot) {
        StringBuilder text = new StringBuilder();
        text.append("roads ").append(depot.roadCount());
        for (int first = 0; first < 6; first++) {
            for (int second = first + 1; second < 6; second++) {
                try {
                    text.append(' ').append(depot.roadLength(first, second));
                } catch (java.util.NoSuchElementException e) {
                    text.append("-");
                }
            }
        }
        for (int parcel = 0; parcel < depot.parcelCount(); parcel++) {
            text.append(" parcel ").append(depot.weight(parcel)).append(' ').append(depot.hazard(parcel));
            text.append(' ').append(depot.destination(parcel)).append(' ').append(depot.returns(parcel));
            text.append(depot.state(parcel));
            if (depot.state(parcel) == 's') {
                text.append(depot.sackOf(parcel));
            }
        }
        for (int glove = 0; glove < depot.gloveCount(); glove++) {
            text.append(" glove ").append(depot.grade(glove)).append(' ').append(depot.usesLeft(glove));
        }
        for (int sack = 0; sack < 3; sack++) {
            text.append(" sack ").append(depot.place(sack)).append(' ').append(depot.capacity(sack));
        }
        text.append(" sums ").append(depot.effortSoFar()).append(' ').append(depot.glovesUsedUp());
        return text.toString();
    }

    /** The whole output, as it stands. */
    static String output(ParcelDepot depot) {
        StringBuilder text = new StringBuilder();
        for (int index = 0; index < 1000; index++) {
            try {
                text.append(depot.outputChar(index));
            } catch (IndexOutOfBoundsException e) {
                return text.toString();
            }
        }
        return text.toString();
    }

    /** What stands beside the state that is undone and saved, but for the input buffer. */
    static String beside(ParcelDepot depot) {
        return "output " + output(depot) + " error " + answer(depot::errorPosition) + " failed "
                + answer(depot::failedCommand);
    }

    /** The state and what each undo makes of it. Asking for it changes the depot. */
    private static String undone(ParcelDepot depot) {
        StringBuilder text = new StringBuilder(seen(depot));
        for (int left = depot.undoCount(); left > 0; left--) {
            text.append('\n').append(answer(depot::undo)).append(": ").append(seen(depot));
        }
        return text.toString();
    }

    private static String saved(ParcelDepot depot) {
        return "saved " + answer(depot::restore) + ' ' + seen(depot);
    }

    /** The state, the calls that can be undone, and what was saved. Asking for these changes the depot. */
    static String history(ParcelDepot depot) {
        return undone(depot) + '\n' + saved(depot);
    }

    /** All that a depot tells, also of its input buffer. Asking for it changes the depot. */
    static String told(ParcelDepot depot) {
        StringBuilder text = new StringBuilder(beside(depot));
        text.append("\nundo ").append(depot.undoCount()).append('\n').append(undone(depot));
        text.append("\ninput ").append(answer(depot::runCommands)).append(' ').append(beside(depot));
        text.append('\n').append(seen(depot)).append('\n').append(saved(depot));
        return text.toString();
    }
}
