/** Depots that tests begin with, and what many of them do with one. */
final class Depots {
    private Depots() {
    }

    /** Feeds a text without looking at what feed answers. */
    static ParcelDepot feed(ParcelDepot depot, String text) {
        for (int index = 0; index < text.length(); index++) {
            depot.feed(text.charAt(index));
        }
        return depot;
    }

    static int run(ParcelDepot depot, String text) {
        return feed(depot, text).runCommands();
    }

    static String written(ParcelDepot depot, int sack) {
        int length = depot.writeSack(sack);
        StringBuilder text = new StringBuilder();
        for (int index = 0; index < length; index++) {
            text.append(depot.outputChar(index));
        }
        return text.toString();
    }

    /** A depot with gloves of these grades. */
    static ParcelDepot withGloves(int... grades) {
        ParcelDepot depot = new ParcelDepot();
        for (int grade : grades) {
            depot.buyGlove(grade);
        }
        return depot;
    }

    /** Adds harmless parcels of these weights, bound for place 5. */
    static ParcelDepot addWeights(ParcelDepot depot, int... weights) {
        for (int weight : weights) {
            depot.acceptParcel(weight, 0, 5);
        }
        return depot;
    }

    /** Adds parcels of weight 1 and these hazards, bound for place 5. */
    static ParcelDepot addHazards(ParcelDepot depot, int... hazards) {
        for (int hazard : hazards) {
            depot.acceptParcel(1, hazard, 5);
        }
        return depot;
    }

    /** All that can be seen of the part of a depot that is undone and saved. */
    static String seen(ParcelDepot depot) {
        StringBuilder text = new StringBuilder();
        text.append("roads ").append(depot.roadCount());
        for (int first = 0; first < 6; first++) {
            for (int second = first + 1; second < 6; second++) {
                try {
                    text.append(' ').append(depot.roadLength(first, second));
                } catch (java.util.NoSuchElementException e) {
                    text.append("-");
                }
            }
        }
        for (int parcel = 0; parcel < depot.parcelCount(); parcel++) {
            text.append(" parcel ").append(depot.weight(parcel)).append(' ').append(depot.hazard(parcel));
            text.append(' ').append(depot.destination(parcel)).append(' ').append(depot.returns(parcel));
            text.append(depot.state(parcel));
            if (depot.state(parcel) == 's') {
                text.append(depot.sackOf(parcel));
            }
        }
        for (int glove = 0; glove < depot.gloveCount(); glove++) {
            text.append(" glove ").append(depot.grade(glove)).append(' ').append(depot.usesLeft(glove));
        }
        for (int sack = 0; sack < 3; sack++) {
            text.append(" sack ").append(depot.place(sack)).append(' ').append(depot.capacity(sack));
        }
        text.append(" sums ").append(depot.effortSoFar()).append(' ').append(depot.glovesUsedUp());
        return text.toString();
    }
}
